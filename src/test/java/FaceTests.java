import java.lang.reflect.Constructor;
import java.lang.reflect.Field;
import java.lang.reflect.Method;
import java.lang.reflect.Modifier;
import java.nio.file.Files;
import java.nio.file.Path;
import java.util.Arrays;
import java.util.Random;
import java.util.TreeSet;

/** The face is the document's and no more; calls keep within the room; the source names nothing that is ruled out. */
public final class FaceTests {
    private static final String[] FACE = {"feed int int int int int : int", "hall int : int", "fault : int", "count int : int",
        "evening int int : int", "kind int int : int", "price int : int", "chance int int boolean : int", "good int int : int",
        "buys int : int", "goes int int int int : boolean", "coming int int : int", "often int int : long", "full int int : int",
        "earns : long", "prices int int int int : int", "found int : long", "over int int : int", "again int int int : int",
        "pair int : long", "paired int : int", "years int int int : long", "order : long", "ordered int : int", "owed int int : int",
        "begin int : void", "on int : int", "seen int int : int", "image : boolean", "restore : boolean"};
    private static final String[] RULED_OUT = {"->", "::", " catch", " finally", "synchronized", " assert", "static {", "Exact",
        "ArrayIndexOutOfBounds", "NullPointer", "ClassCast", "NegativeArraySize", "ArrayStore", "ArithmeticException", "java.io",
        "System.", "Random", "Thread", "\t"};

    private static final Check CHECK = new Check();

    private FaceTests() {
    }

    public static void main(String[] args) throws Exception {
        face();
        innerClasses();
        source(Files.readString(Path.of(args.length > 0 ? args[0] : "src/main/java/SeatHall.java")));
        anyCalls();
        room();
        CHECK.end();
    }

    private static String told(Method method) {
        StringBuilder told = new StringBuilder(method.getName());
        for (Class<?> type : method.getParameterTypes()) {
            told.append(' ').append(type.getName());
        }
        return told.append(" : ").append(method.getReturnType().getName()).toString();
    }

    private static void face() {
        TreeSet<String> got = new TreeSet<>();
        TreeSet<String> hidden = new TreeSet<>();
        for (Method method : SeatHall.class.getDeclaredMethods()) {
            if (method.isSynthetic()) {
                continue;
            }
            if (Modifier.isPrivate(method.getModifiers())) {
                hidden.add(method.getName());
            } else {
                got.add(told(method));
                CHECK.due("face: public " + method.getName(), Modifier.PUBLIC, () -> method.getModifiers());
            }
        }
        CHECK.due("face: exactly the document's methods", 1, () -> Check.bit(got.equals(new TreeSet<>(Arrays.asList(FACE)))));
        for (Method method : SeatHall.class.getMethods()) {
            CHECK.due("face: no private method is named " + method.getName(), 0, () -> Check.bit(hidden.contains(method.getName())));
        }
        for (Field field : SeatHall.class.getDeclaredFields()) {
            boolean constant = field.getName().equals("NONE");
            CHECK.due("face: field " + field.getName(), constant ? Modifier.PUBLIC | Modifier.STATIC | Modifier.FINAL : Modifier.PRIVATE,
                    () -> constant ? field.getModifiers() : field.getModifiers() & (Modifier.PUBLIC | Modifier.PROTECTED | Modifier.PRIVATE));
        }
        Constructor<?>[] makers = SeatHall.class.getDeclaredConstructors();
        CHECK.due("face: one constructor", 1, () -> makers.length);
        CHECK.due("face: it is public", Modifier.PUBLIC, () -> makers[0].getModifiers());
        CHECK.due("face: public and final", Modifier.PUBLIC | Modifier.FINAL, () -> SeatHall.class.getModifiers());
    }

    private static boolean isOfTheFace(String name) {
        boolean there = false;
        for (String method : FACE) {
            there |= method.startsWith(name + " ");
        }
        return there;
    }

    private static void innerClasses() {
        Class<?>[] inside = SeatHall.class.getDeclaredClasses();
        CHECK.due("rule 11: at most twelve classes", 1, () -> Check.bit(inside.length <= 12));
        for (Class<?> type : inside) {
            CHECK.due("rule 1: static and private " + type.getName(), Modifier.STATIC | Modifier.PRIVATE,
                    () -> type.getModifiers() & (Modifier.STATIC | Modifier.PRIVATE | Modifier.PUBLIC));
            int fields = 0;
            for (Field field : type.getDeclaredFields()) {
                fields += Modifier.isStatic(field.getModifiers()) ? 0 : 1;
            }
            int some = fields;
            CHECK.due("rule 11: at most twenty fields in " + type.getName(), 1, () -> Check.bit(some <= 20));
            for (Method method : type.getDeclaredMethods()) {
                CHECK.due("rule 1: no name of the face for " + method.getName(), 0, () -> Check.bit(isOfTheFace(method.getName())));
                CHECK.due("rule 11: at most seven parameters of " + method.getName(), 1, () -> Check.bit(method.getParameterCount() <= 7));
            }
        }
    }

    private static void source(String text) {
        for (String word : RULED_OUT) {
            CHECK.due("rule 4, 6: no '" + word + "'", -1, () -> text.indexOf(word));
        }
        CHECK.due("rule 4: one import", text.indexOf("import "), () -> text.lastIndexOf("import "));
        CHECK.due("rule 4: of the exception", 0, () -> text.indexOf("import java.util.NoSuchElementException;"));
    }

    /** Any argument in any state: nothing but the two exceptions of the document. */
    private static void anyCalls() throws Exception {
        Random random = new Random(5);
        int[] odd = {Integer.MIN_VALUE, Integer.MAX_VALUE, -1, 0, 1, 2, 3, 12, 13, 16, 17, 33, 60, 700, 9999, 1 << 30};
        Method[] methods = SeatHall.class.getDeclaredMethods();
        Arrays.sort(methods, (a, b) -> a.getName().compareTo(b.getName()));
        for (int run = 0; run < 60; run++) {
            SeatHall hall = run % 3 == 0 ? new SeatHall() : Check.hall("chairs 3;" + "evening 0 2 rain 500;evening 1 3;".repeat(run % 8)
                    + "people 9 comes 500 habit 300 falls 90 worth 9 8 7 6;people 9 comes 900 worth 9 20 7 6 young;".repeat(run % 3)
                    + "year 5;ten 2 9;cheap 4;seats 3 adds 4;seats 2 adds 5;");
            for (int i = 0; i < 450; i++) {
                Method method = methods[random.nextInt(methods.length)];
                if (!Modifier.isPublic(method.getModifiers())) {
                    continue;
                }
                Object[] args = new Object[method.getParameterCount()];
                for (int a = 0; a < args.length; a++) {
                    boolean flag = method.getParameterTypes()[a] == boolean.class;
                    args[a] = flag ? (Object) (i % 2 == 0) : Integer.valueOf(random.nextInt(4) > 0 ? random.nextInt(6) : odd[random.nextInt(odd.length)]);
                }
                throwsOnlyAsTold(hall, method, args);
            }
        }
        CHECK.due("no other exception", 0, () -> others);
    }

    private static int others;

    private static void throwsOnlyAsTold(SeatHall hall, Method method, Object[] args) throws Exception {
        try {
            method.invoke(hall, args);
        } catch (java.lang.reflect.InvocationTargetException e) {
            boolean told = false;
            for (Class<?> type : method.getExceptionTypes()) {
                told |= type == e.getCause().getClass();
            }
            if (!told) {
                others++;
                System.out.println(method.getName() + " " + Arrays.toString(args) + " threw " + e.getCause());
            }
        }
    }

    /** What calls make is counted: the dearest ones of the greatest hall make nothing. */
    private static void room() {
        com.sun.management.ThreadMXBean bean = (com.sun.management.ThreadMXBean) java.lang.management.ManagementFactory.getThreadMXBean();
        SeatHall hall = Check.hall("chairs 50;" + "evening 0 2 rain 500;".repeat(16) + "people 60 comes 500 worth 9 8 7 6;".repeat(6)
                + "year 5;ten 12 9;set 3 of 0 1 2;cheap 4;seats 9 adds 4;");
        long me = Thread.currentThread().getId();
        long before = bean.getThreadAllocatedBytes(me);
        hall.prices(1, 0, 59, 1);
        hall.pair(3);
        hall.over(0, 5);
        hall.order();
        hall.years(60, 500, 1);
        hall.begin(5);
        hall.on(16);
        hall.image();
        hall.restore();
        hall.full(3, 1);
        hall.often(0, 4);
        hall.feed(0x20202020, 0x20202020, 0x20202020, 0x20202020, 0x20202020);
        hall.hall(20);
        long made = bean.getThreadAllocatedBytes(me) - before;
        CHECK.due("room: calls make no objects (made " + made + " bytes)", 1, () -> Check.bit(made < 10000));
        long first = bean.getThreadAllocatedBytes(me);
        new SeatHall();
        long size = bean.getThreadAllocatedBytes(me) - first;
        CHECK.due("room: an object is small (" + size + " bytes)", 1, () -> Check.bit(size < 100000));
    }
}
