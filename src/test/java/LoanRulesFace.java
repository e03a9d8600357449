import java.lang.reflect.Constructor;
import java.lang.reflect.Field;
import java.lang.reflect.Method;
import java.lang.reflect.Modifier;
import java.util.TreeSet;

/** The public face is the document's, and nothing else of the class can be seen from outside. */
public final class LoanRulesFace {
    private static int wrong = 0;

    private static void same(String what, Object got, Object want) {
        if (!want.equals(got)) {
            wrong++;
            System.out.println(what + " is " + got + ", due is " + want);
        }
    }

    private static TreeSet<String> documentedMethods() {
        TreeSet<String> face = new TreeSet<>();
        face.add("public void LoanRules.sign(int)");
        face.add("public int LoanRules.rule()");
        face.add("public boolean LoanRules.closed(int,boolean)");
        face.add("public int LoanRules.term(int)");
        face.add("public int LoanRules.row(int,int,int)");
        face.add("public int LoanRules.lend(int,int,int) throws java.lang.IllegalStateException");
        face.add("public int LoanRules.due(int)");
        face.add("public int LoanRules.renew(int,int)");
        face.add("public int LoanRules.recall(int,int)");
        face.add("public int LoanRules.back(int)");
        face.add("public int LoanRules.block(int,int)");
        face.add("public int LoanRules.except(int,int,int)");
        face.add("public boolean LoanRules.throwsUp(int,boolean)");
        face.add("public int LoanRules.explain(int)");
        face.add("public int LoanRules.never(int)");
        face.add("public int LoanRules.clash(int,int)");
        return face;
    }

    public static void main(String[] args) {
        int modifiers = LoanRules.class.getModifiers();
        same("the class public and final", Modifier.isPublic(modifiers) && Modifier.isFinal(modifiers), true);

        TreeSet<String> methods = new TreeSet<>();
        for (Method m : LoanRules.class.getDeclaredMethods()) {
            if (!Modifier.isPrivate(m.getModifiers()) && !m.isSynthetic()) {
                methods.add(m.toString());
            }
        }
        same("the visible methods", methods, documentedMethods());

        TreeSet<String> fields = new TreeSet<>();
        for (Field f : LoanRules.class.getDeclaredFields()) {
            if (!Modifier.isPrivate(f.getModifiers()) && !f.isSynthetic()) {
                fields.add(f.toString());
            }
        }
        same("the visible fields", fields.toString(), "[public static final int LoanRules.NONE]");

        TreeSet<String> constructors = new TreeSet<>();
        for (Constructor<?> c : LoanRules.class.getDeclaredConstructors()) {
            constructors.add(c.toString());
        }
        same("the constructors", constructors.toString(), "[public LoanRules()]");

        System.out.println(wrong == 0 ? "the face is as due" : wrong + " parts of the face are not as due");
        if (wrong != 0) {
            System.exit(1);
        }
    }
}
