import java.lang.management.ManagementFactory;
import java.lang.reflect.Constructor;
import java.lang.reflect.Field;
import java.lang.reflect.Method;
import java.lang.reflect.Modifier;
import java.util.ArrayList;
import java.util.List;
import java.util.NoSuchElementException;
import java.util.Set;
import java.util.TreeSet;

/** The document's face and no other, some of LANGUAGE.md's rules, and that calls make no objects. */
public final class FaceTest {
    private static final Check CHECK = new Check();
    private static final String FACE = "boolean begin()|boolean end(int)|boolean image(int)|boolean restore(int)|int again(int)|"
        + "int at(int,int,int)|int brook()|int by(int,int)|int byteAt(int)|int comes(int,int)|int count(int)|int dry(int,int,int)|"
        + "int exchanged(int)|int falls(int)|int fault()|int fed(int)|int feed(int,int,int,int,int)|int goes(int,int)|int greatest(int)|"
        + "int hour()|int kept(int)|int kindle(int,int)|int kindled()|int lacks(int,int)|int longer(int,int)|int loss(int)|int made()|"
        + "int needed(int,int)|int on(int)|int order(int)|int parts(int,int)|int plan()|int rest()|int said(int)|int sentence()|"
        + "int steadies(int)|int steady(int)|int vat(int,int)|int went(int,int)|int wider(int,int)|int work(int,int)|int worth(int)|"
        + "int write()|long worthOf(int,int)";

    private FaceTest() {
    }

    public static void main(String[] args) {
        theFace();
        noOtherMembers();
        theClassesInside();
        anyArguments();
        callsMakeNothing();
        CHECK.close("FaceTest");
    }

    private static void theFace() {
        Set<String> got = new TreeSet<>();
        for (Method m : WasteBrook.class.getDeclaredMethods()) {
            if (Modifier.isPublic(m.getModifiers())) {
                List<String> types = new ArrayList<>();
                for (Class<?> c : m.getParameterTypes()) {
                    types.add(c.getName());
                }
                got.add(m.getReturnType().getName() + " " + m.getName() + "(" + String.join(",", types) + ")");
            }
        }
        CHECK.yes("the public methods: " + got, String.join("|", got).equals(FACE));
        CHECK.yes("the class is public and final", (WasteBrook.class.getModifiers() & (Modifier.PUBLIC | Modifier.FINAL)) == (Modifier.PUBLIC | Modifier.FINAL));
        CHECK.eq("constructors", WasteBrook.class.getConstructors().length, 1);
        CHECK.eq("public fields", WasteBrook.class.getFields().length, 1);
    }

    private static void noOtherMembers() {
        for (Method m : WasteBrook.class.getDeclaredMethods()) {
            boolean fine = Modifier.isPublic(m.getModifiers()) || Modifier.isPrivate(m.getModifiers()) || m.isSynthetic();
            CHECK.yes("public or private: " + m.getName(), fine);
        }
        for (Field f : WasteBrook.class.getDeclaredFields()) {
            CHECK.yes("private but NONE: " + f.getName(), f.getName().equals("NONE") || Modifier.isPrivate(f.getModifiers()));
        }
        for (Constructor<?> c : WasteBrook.class.getDeclaredConstructors()) {
            CHECK.eq("without arguments", c.getParameterCount(), 0);
        }
    }

    private static void theClassesInside() {
        Set<String> names = new TreeSet<>();
        for (Method m : WasteBrook.class.getMethods()) {
            names.add(m.getName());
        }
        List<Class<?>> all = new ArrayList<>(List.of(WasteBrook.class.getDeclaredClasses()));
        CHECK.yes("some twelve classes", all.size() < 12);
        all.add(WasteBrook.class);
        for (Class<?> c : all) {
            CHECK.yes("static: " + c, c == WasteBrook.class || Modifier.isStatic(c.getModifiers()));
            int fields = 0;
            for (Field f : c.getDeclaredFields()) {
                fields += Modifier.isStatic(f.getModifiers()) ? 0 : 1;
                CHECK.yes("static fields are final: " + f, !Modifier.isStatic(f.getModifiers()) || Modifier.isFinal(f.getModifiers()));
            }
            CHECK.yes("some twenty fields: " + c, fields <= 20);
            for (Method m : c.getDeclaredMethods()) {
                CHECK.yes("seven parameters: " + m, m.getParameterCount() <= 7);
                CHECK.no("a name of the face: " + m, c != WasteBrook.class && names.contains(m.getName()));
                CHECK.no("a private one: " + m, Modifier.isPrivate(m.getModifiers()) && names.contains(m.getName()));
            }
        }
    }

    /** Whatever the arguments and the state: an answer, or what the document names. */
    private static void anyArguments() {
        int[] some = {0, 1, -1, 2, 5, 6, 7, 8, 9, 11, 12, 47, 48, 99, 100, 199, 200, 201, 255, 256, 940,
            Integer.MAX_VALUE, Integer.MIN_VALUE, Integer.MAX_VALUE / 6, Integer.MIN_VALUE + 1};
        String[] brooks = {"", "good a 0;", "work p;", "good a 1;good b 0;work p;takes p a 1 2 1;gives p b 9;feeds p a 1;work q;takes q b 2 99 9;joined;",
            "good a 0;good b 0;good c 0;good d 0;good e 0;good f 9;work p;work q;work r;work s;work t;work u;work v;work w;takes w f 9 99 99;gives w f 9;joined;"};
        for (String text : brooks) {
            for (Method m : WasteBrook.class.getDeclaredMethods()) {
                if (Modifier.isPublic(m.getModifiers())) {
                    tryAll(m, text, some);
                }
            }
        }
    }

    private static void tryAll(Method m, String text, int[] some) {
        int many = Math.min(3, m.getParameterCount());
        int calls = 1;
        for (int i = 0; i < many; i++) {
            calls *= some.length;
        }
        WasteBrook x = Check.of(text);
        for (int call = 0; call < calls; call += many == 3 ? 7 : 1) {
            if (call % 400 == 0) {
                x = Check.of(text);
                if (call % 800 == 0) {
                    x.begin();
                    x.on(3);
                    x.worth(3);
                    x.image(1);
                }
            }
            Object[] args = new Object[m.getParameterCount()];
            int rest = call;
            for (int i = 0; i < args.length; i++) {
                args[i] = some[rest % some.length];
                rest /= some.length;
            }
            CHECK.yes(m.getName() + " " + List.of(args), isFine(m, x, args));
        }
    }

    private static boolean isFine(Method m, WasteBrook x, Object[] args) {
        try {
            m.invoke(x, args);
            return true;
        } catch (java.lang.reflect.InvocationTargetException e) {
            boolean named = m.getName().equals("work") || m.getName().equals("worthOf");
            return named && e.getCause().getClass() == NoSuchElementException.class;
        } catch (IllegalAccessException e) {
            return false;
        }
    }

    private static void callsMakeNothing() {
        WasteBrook x = Check.of("good a 0;good b 1;work p;takes p a 1 9 3;gives p b 4;makes p 2;feeds p a 1;work q 2 9;takes q b 2 9 9;makes q 5;joined;");
        com.sun.management.ThreadMXBean threads = (com.sun.management.ThreadMXBean) ManagementFactory.getThreadMXBean();
        everyCall(x);
        long before = threads.getCurrentThreadAllocatedBytes();
        for (int i = 0; i < 20; i++) {
            everyCall(x);
        }
        long made = threads.getCurrentThreadAllocatedBytes() - before;
        CHECK.yes("bytes made by 20 times all calls: " + made, made < 20 * 64);
    }

    private static void everyCall(WasteBrook x) {
        x.begin();
        x.on(30);
        x.feed(0x676f6f64, 0x20206162, 0x20333b0a, 0x20202020, 0x0a0a0a0a);
        x.plan();
        x.feed(0x776f726b, 0x20206162, 0x20203b0a, 0x20202020, 0x0a0a0a0a);
        x.sentence();
        x.feed(0x676f6f64, 0x20206162, 0x20332e0a, 0x20202020, 0x0a0a0a0a);
        x.brook();
        x.goes(0, 3);
        x.order(1);
        x.again(0);
        x.by(3, 50);
        x.needed(0, 50);
        x.worth(50);
        x.worthOf(0, 0);
        x.kept(50);
        x.steadies(-1);
        x.greatest(3);
        x.falls(0);
        x.fed(2);
        x.kindle(3, 20);
        x.wider(3, 20);
        x.longer(3, 20);
        x.exchanged(20);
        x.dry(0, 0, 20);
        x.rest();
        x.write();
        x.byteAt(0);
        x.said(-1);
        x.image(0);
        x.restore(0);
        x.count(2);
    }
}
