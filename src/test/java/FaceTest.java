import java.lang.reflect.Constructor;
import java.lang.reflect.Field;
import java.lang.reflect.Method;
import java.lang.reflect.Modifier;
import java.util.Arrays;
import java.util.TreeSet;

/** The public face: just the members of the document, and every other one private. */
public final class FaceTest {
    private static final String[] METHODS = {
        "int at(int,int)", "int check()", "int code(int)", "int count(int)", "int get(int)", "int place()", "int plain()",
        "int put(int,int,int)", "int run()", "int set(int,int)", "int table(int,boolean,int)", "int token(int)",
        "int told(int)", "int trace(int)", "int variable(int,boolean)", "long mark()"
    };
    private static final String[] CONSTANTS = {"BAD", "CUT", "DEEP", "FULL", "LEAK", "NONE", "NUMBER", "TRAP", "WRONG"};

    public static void main(String[] args) {
        Due due = new Due("FaceTest");
        Class<?> face = SteadyCompiler.class;
        due.same("modifiers of the class", face.getModifiers(), Modifier.PUBLIC | Modifier.FINAL);
        TreeSet<String> methods = new TreeSet<>();
        TreeSet<String> hidden = new TreeSet<>();
        for (Method m : face.getDeclaredMethods()) {
            if (Modifier.isPrivate(m.getModifiers())) {
                hidden.add(m.getName());
            } else {
                due.same("modifiers of " + m, m.getModifiers(), Modifier.PUBLIC);
                methods.add(written(m));
            }
        }
        due.holds("methods " + methods, methods.equals(new TreeSet<>(Arrays.asList(METHODS))));
        for (String name : METHODS) {
            String bare = name.substring(name.indexOf(' ') + 1, name.indexOf('('));
            due.holds("no private method " + bare, !hidden.contains(bare));
        }
        TreeSet<String> constants = new TreeSet<>();
        for (Field f : face.getDeclaredFields()) {
            if (!Modifier.isPrivate(f.getModifiers())) {
                due.same("modifiers of " + f, f.getModifiers(), Modifier.PUBLIC | Modifier.STATIC | Modifier.FINAL);
                constants.add(f.getName());
            }
        }
        due.holds("constants " + constants, constants.equals(new TreeSet<>(Arrays.asList(CONSTANTS))));
        Constructor<?>[] made = face.getDeclaredConstructors();
        due.same("constructors", made.length, 1);
        due.same("the constructor is public", made[0].getModifiers(), Modifier.PUBLIC);
        due.same("the constructor's parameters", made[0].getParameterCount(), 0);
        values(due);
        due.end();
    }

    private static String written(Method m) {
        StringBuilder all = new StringBuilder(m.getReturnType().getName() + " " + m.getName() + "(");
        for (Class<?> c : m.getParameterTypes()) {
            all.append(all.charAt(all.length() - 1) == '(' ? "" : ",").append(c.getName());
        }
        return all.append(")").toString();
    }

    private static void values(Due due) {
        due.same("NONE", SteadyCompiler.NONE, -1);
        due.same("BAD", SteadyCompiler.BAD, -2);
        due.same("FULL", SteadyCompiler.FULL, -3);
        due.same("CUT", SteadyCompiler.CUT, -4);
        due.same("TRAP", SteadyCompiler.TRAP, -5);
        due.same("WRONG", SteadyCompiler.WRONG, -11);
        due.same("NUMBER", SteadyCompiler.NUMBER, -12);
        due.same("DEEP", SteadyCompiler.DEEP, -13);
        due.same("LEAK", SteadyCompiler.LEAK, -14);
    }
}
