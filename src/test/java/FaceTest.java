import java.lang.reflect.Constructor;
import java.lang.reflect.Field;
import java.lang.reflect.InvocationTargetException;
import java.lang.reflect.Member;
import java.lang.reflect.Method;
import java.lang.reflect.Modifier;
import java.util.Arrays;
import java.util.List;
import java.util.stream.Collectors;
import java.util.stream.Stream;

/** The sections "What it is" and "The public face": what can be called, how often, and with which exceptions. */
public final class FaceTest {
    private static final int PROMISED_CALLS = 512;
    private static final String FACE = """
            int again(int) throws IndexOutOfBoundsException, IllegalStateException
            int abortsWith(int, int) throws IllegalArgumentException
            int append(int) throws IllegalArgumentException, IllegalStateException
            int begin(int, int, int) throws IllegalArgumentException
            int bestPolicy()
            int cached(int, int) throws IndexOutOfBoundsException
            int clearText()
            int commit(int, int) throws IndexOutOfBoundsException, IllegalArgumentException
            int commitValue(int, int, boolean) throws IndexOutOfBoundsException
            int commits()
            int core(int, int) throws IndexOutOfBoundsException, IllegalArgumentException
            int counter(int) throws IllegalArgumentException
            long digest()
            int finish(int) throws IllegalArgumentException
            int load(int) throws IndexOutOfBoundsException, IllegalStateException
            int memory(int, boolean) throws IndexOutOfBoundsException
            int poke(int, int) throws IndexOutOfBoundsException
            int run(int) throws IllegalArgumentException
            int seed(int) throws IllegalArgumentException
            boolean serializable()
            int set(int, boolean) throws IndexOutOfBoundsException
            int setPolicy(int) throws IllegalArgumentException
            int state(int, int) throws IndexOutOfBoundsException
            int step(int) throws IndexOutOfBoundsException, IllegalStateException
            int undo() throws IllegalStateException
            int value(int) throws IllegalArgumentException
            """;

    public static void main(String[] args) throws IllegalAccessException {
        face();
        nothingElseIsVisible();
        lastPromisedCall();
        callsBeyondThePromisedOnes();
        Check.end();
    }

    private static Stream<Method> publicMethods() {
        return Arrays.stream(SpeculativeCaches.class.getDeclaredMethods())
                .filter(method -> Modifier.isPublic(method.getModifiers()));
    }

    private static String names(Class<?>[] types) {
        return Arrays.stream(types).map(Class::getSimpleName).collect(Collectors.joining(", "));
    }

    private static String signature(Method method) {
        String call = method.getReturnType() + " " + method.getName() + "(" + names(method.getParameterTypes()) + ")";
        Class<?>[] thrown = method.getExceptionTypes();
        return thrown.length == 0 ? call : call + " throws " + names(thrown);
    }

    private static void face() {
        Check.sentence("public final class SpeculativeCaches {");
        List<String> due = FACE.lines().sorted().toList();
        List<String> found = publicMethods().map(FaceTest::signature).sorted().toList();
        Check.due("number of public methods", found.size(), due.size());
        for (String each : due) {
            Check.due("there is " + each, found.contains(each), true);
        }
        int type = SpeculativeCaches.class.getModifiers();
        Check.due("public and final", Modifier.isPublic(type) && Modifier.isFinal(type), true);
        Check.due("NONE", SpeculativeCaches.NONE, -1);
    }

    private static void nothingElseIsVisible() {
        Check.sentence("public SpeculativeCaches();", "and no other member that is not private");
        Constructor<?>[] constructors = SpeculativeCaches.class.getDeclaredConstructors();
        Check.due("constructors", constructors.length, 1);
        Check.due("its parameters", constructors[0].getParameterCount(), 0);
        Field[] fields = SpeculativeCaches.class.getDeclaredFields();
        Method[] methods = SpeculativeCaches.class.getDeclaredMethods();
        for (Member member : Stream.concat(Arrays.stream(fields), Arrays.stream(methods)).toList()) {
            boolean ofTheFace = Modifier.isPublic(member.getModifiers())
                    && (member instanceof Method || member.getName().equals("NONE"));
            boolean hidden = Modifier.isPrivate(member.getModifiers()) || member.isSynthetic();
            Check.due(member.getName() + " is of the face or private", ofTheFace || hidden, true);
        }
    }

    private static void lastPromisedCall() {
        Check.sentence("An object is used for at most 512 calls after it has been made");
        SpeculativeCaches x = new SpeculativeCaches();
        for (int call = 1; call < PROMISED_CALLS - 1; call++) {
            Check.due("call " + call, x.seed(call + 1), call);
        }
        Check.due("the last but one", x.undo(), 3);
        Check.due("the last", x.seed(0), PROMISED_CALLS - 2);
    }

    private static Object[] arguments(Method method, int seed) {
        int[] values = {-1, 0, 1, 2, 3, 4, 7, 8, 59, 98, 119, 400, 1000, Integer.MIN_VALUE, Integer.MAX_VALUE};
        Class<?>[] types = method.getParameterTypes();
        Object[] arguments = new Object[types.length];
        int rest = seed;
        for (int i = 0; i < types.length; i++) {
            arguments[i] = types[i] == int.class ? (Object) values[rest % values.length] : rest % 2 == 0;
            rest = rest / values.length + i;
        }
        return arguments;
    }

    /** What these calls answer is free; that they throw nothing but what their signatures name is not. */
    private static void callsBeyondThePromisedOnes() throws IllegalAccessException {
        Check.sentence("what later calls answer is free", "but no call throws by itself");
        SpeculativeCaches x = new SpeculativeCaches();
        List<Method> methods = publicMethods().toList();
        long random = 1;
        for (int call = 0; call < 20000; call++) {
            if (call % 100 == 0) {
                loadAll(x, call / 100);
            }
            random = random * 6364136223846793005L + 1442695040888963407L;
            Method method = methods.get((int) ((random >>> 33) % methods.size()));
            dueNamed(x, method, arguments(method, (int) (random >>> 40 & 0xffffff)));
        }
    }

    private static void loadAll(SpeculativeCaches x, int round) {
        x.begin(2 + round % 3, round % 3, 1 + round % 8);
        for (int core = 0; core < x.value(0); core++) {
            Check.load(x, core, "r0;a1;w1;b;r1;w0;w" + round % 8 + ";w7;r7;c;b;w2;");
        }
    }

    private static void dueNamed(SpeculativeCaches x, Method method, Object[] arguments) throws IllegalAccessException {
        try {
            method.invoke(x, arguments);
        } catch (InvocationTargetException e) {
            boolean named = Arrays.asList(method.getExceptionTypes()).contains(e.getCause().getClass());
            Check.due(method.getName() + " throws only what it names", named, true);
        }
    }
}
