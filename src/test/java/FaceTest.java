import java.lang.reflect.Constructor;
import java.lang.reflect.Field;
import java.lang.reflect.Method;
import java.lang.reflect.Modifier;
import java.util.Arrays;
import java.util.TreeSet;

/** The face of the class: the constructor, the methods and the constants of the document, and nothing else. */
public final class FaceTest {
    private static final String METHODS = "int sort() S; boolean below(int,int) XS; int variable(int,int) XAS;"
            + " int operator(int,int,int) XAS; int declare(int,int,int,int,int) XS; int term(int) AS; int apply(int) XS;"
            + " int keep(int) AS; int load(int) AS; int drop() -; int sortOf() S; int code(int) XS; int matches() S;"
            + " int matchesAnew() S; int match(int,int) XS; int tell(boolean,boolean) S; int equations() -; int reduce() S;"
            + " int fitting() S; int matching() S; int search() S; boolean isCut() -; int state(int) XS; int cameBy(int) X;"
            + " int finds(int) XS; boolean holds(int) AS; int use(int) XS; int idle() S; int test() S; int both(boolean) S;"
            + " int many() S; int run() S; int pairs() -; int joins(int) X; int weight(int,int,int) XA; boolean descends(int) X;"
            + " int complete() -; int view(int,int) XA; int copy(int) XS";

    private static final String CONSTANTS = "NONE=-1 FAILED=-2 FREE=0 PAIR=1 ROW=2 BAG=3 ALWAYS=0 POSSIBLE=1 SURE=2";

    private static String letters(Class<?>[] exceptions) {
        StringBuilder all = new StringBuilder();
        for (Class<?> e : exceptions) {
            all.append(e == IndexOutOfBoundsException.class ? "X" : e == IllegalArgumentException.class ? "A"
                    : e == IllegalStateException.class ? "S" : e.getName());
        }
        return all.length() == 0 ? "-" : all.toString();
    }

    private static void methods() {
        TreeSet<String> found = new TreeSet<>();
        for (Method m : RuleForge.class.getDeclaredMethods()) {
            if (!Modifier.isPrivate(m.getModifiers())) {
                String parameters = Arrays.toString(m.getParameterTypes()).replaceAll("[\\[\\] ]", "");
                found.add(m.getReturnType() + " " + m.getName() + "(" + parameters + ") " + letters(m.getExceptionTypes()));
                Bench.due(m.getName() + " is public, and no static one", m.getModifiers(), Modifier.PUBLIC);
            }
        }
        Bench.due("the methods", found.toString(), new TreeSet<>(Arrays.asList(METHODS.split("; "))).toString());
    }

    private static void constants() throws IllegalAccessException {
        TreeSet<String> found = new TreeSet<>();
        for (Field f : RuleForge.class.getDeclaredFields()) {
            if (!Modifier.isPrivate(f.getModifiers())) {
                Bench.due(f.getName(), f.getModifiers(), Modifier.PUBLIC | Modifier.STATIC | Modifier.FINAL);
                Bench.due(f.getName() + " is an int", f.getType().toString(), "int");
                found.add(f.getName() + "=" + f.getInt(null));
            }
        }
        Bench.due("the constants", found.toString(), new TreeSet<>(Arrays.asList(CONSTANTS.split(" "))).toString());
    }

    private static void classes() {
        Bench.due("the class", RuleForge.class.getModifiers(), Modifier.PUBLIC | Modifier.FINAL);
        Constructor<?>[] constructors = RuleForge.class.getDeclaredConstructors();
        Bench.due("constructors", constructors.length, 1);
        Bench.due("its parameters", constructors[0].getParameterCount(), 0);
        Bench.due("it is public", constructors[0].getModifiers(), Modifier.PUBLIC);
        for (Class<?> inside : RuleForge.class.getDeclaredClasses()) {
            int open = Modifier.PUBLIC | Modifier.PROTECTED;
            Bench.due(inside.getSimpleName() + " is for RuleForge alone", inside.getModifiers() & open, 0);
        }
    }

    public static void main(String[] args) throws IllegalAccessException {
        methods();
        constants();
        classes();
        Bench.end();
    }
}
