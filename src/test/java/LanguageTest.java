import java.io.IOException;
import java.lang.management.ManagementFactory;
import java.lang.reflect.Constructor;
import java.lang.reflect.Field;
import java.lang.reflect.Method;
import java.lang.reflect.Modifier;
import java.nio.charset.StandardCharsets;
import java.nio.file.Files;
import java.nio.file.Path;
import java.util.ArrayList;
import java.util.List;
import java.util.Set;
import java.util.TreeSet;
import java.util.regex.Matcher;
import java.util.regex.Pattern;

/** What can be seen of LANGUAGE.md from outside: the face, the sizes, the words of the source, what a call makes. */
public final class LanguageTest {
    private static final String FACE = "act/3 as/2 back/0 behind/3 book/3 chain/3 cost/4 count/1 enough/2 feed/1 guess/2 "
        + "image/0 letter/1 likeliest/2 listed/2 looked/0 makes/2 meant/2 mender/2 never/1 of/2 room/1 round/3 row/3 "
        + "saved/1 send/0 slips/3 stands/2 stays/1 telephone/0 told/1 touches/3 trace/1 twins/0 type/2 undo/0 weigh/2 "
        + "who/2 word/2 wrong/2";
    private static final String BANNED = "\\b(throw|throws|try|catch|finally|synchronized|assert|import|package|null|new "
        + "String|equals|hashCode|toString|System|Thread|Random|float|double|var)\\b|->|::|\\+ \"|\" \\+|\\w+Exact\\(";
    private static int wrong = 0;

    private static void hold(boolean holds, String what) {
        if (!holds) {
            wrong++;
            System.out.println("not so: " + what);
        }
    }

    private static void lookAtFace() {
        Set<String> face = new TreeSet<>();
        for (Method m : PutBack.class.getDeclaredMethods()) {
            if (Modifier.isPublic(m.getModifiers())) {
                face.add(m.getName() + "/" + m.getParameterCount());
            } else {
                hold(Modifier.isPrivate(m.getModifiers()), "private: " + m);
                hold(!(" " + FACE).contains(" " + m.getName() + "/"), "no name of a public one: " + m);
            }
        }
        hold(String.join(" ", face).equals(FACE), "the face: " + face);
        for (Field f : PutBack.class.getDeclaredFields()) {
            boolean isConstant = Set.of("NONE", "BAD", "STATE", "FULL", "NO").contains(f.getName());
            hold(isConstant ? Modifier.isPublic(f.getModifiers()) : Modifier.isPrivate(f.getModifiers()), "member: " + f);
        }
        Constructor<?>[] made = PutBack.class.getDeclaredConstructors();
        hold(made.length == 1 && Modifier.isPublic(made[0].getModifiers()), "one public constructor");
        hold(Modifier.isFinal(PutBack.class.getModifiers()), "a final class");
    }

    private static void lookAtClasses() {
        List<Class<?>> all = new ArrayList<>(List.of(PutBack.class.getDeclaredClasses()));
        all.add(PutBack.class);
        hold(all.size() <= 12, "some twelve classes: " + all.size());
        for (Class<?> c : all) {
            hold(c == PutBack.class || Modifier.isStatic(c.getModifiers()), "static: " + c);
            int fields = 0;
            for (Field f : c.getDeclaredFields()) {
                boolean isStatic = Modifier.isStatic(f.getModifiers());
                fields += isStatic ? 0 : 1;
                hold(!isStatic || Modifier.isFinal(f.getModifiers()), "final: " + f);
            }
            hold(fields <= 20, "some twenty fields: " + c);
            for (Method m : c.getDeclaredMethods()) {
                hold(m.getParameterCount() <= 7, "seven parameters: " + m);
            }
        }
    }

    private static void lookAtSource() throws IOException {
        String source = Files.readString(Path.of("src/main/java/PutBack.java"), StandardCharsets.ISO_8859_1);
        String bare = source.replaceAll("(?s)/\\*.*?\\*/", "").replaceAll("//[^\n]*", "");
        Matcher banned = Pattern.compile(BANNED).matcher(bare);
        while (banned.find()) {
            hold(false, "no '" + banned.group() + "' in the source");
        }
        hold(source.chars().allMatch(c -> c == '\n' || c >= 32 && c < 127), "plain signs alone");
        int lines = 0;
        for (String line : bare.split("\n")) {
            boolean begins = line.matches(" +(public |private |static |final )*[\\w\\[\\]]+ \\w+\\(.*\\) \\{") && !line.contains("else");
            lines = begins ? 0 : lines + 1;
            hold(lines <= 60 || !line.matches(" {4,8}\\}"), "some sixty lines: " + line);
        }
    }

    /** One run of many calls; it is to make nothing, since all calls share one room. */
    private static long use(PutBack x) {
        long sum = 0;
        String tape = "limit 30;step 7;dear 3 !(t<2|w>3)&s<5;free 2 d=1";
        for (int k = 0; k < tape.length(); k++) {
            sum += x.feed(tape.charAt(k));
        }
        sum += x.telephone() + x.feed(3) + x.telephone();
        for (int k = 0; k < 9; k++) {
            sum += x.word(11 + k * 11, k * 9) + x.mender(k % 7, k) + x.behind(k, k + 1, true) + x.weigh(k, k * 10);
            sum += x.listed(k, 2) + x.of(k, 0) + x.row(k, 1, 2) + x.told(k) + x.guess(1 + k, 0) + x.letter(k);
        }
        for (int m = 0; m < 5; m++) {
            sum += x.type(m, 12) + x.back() + x.makes(m, 13) + x.cost(m, 14, 2, 1) + x.stays(m) + x.touches(m, 5, 1);
            sum += x.never(m) + x.round(m, 15, 0) + x.stands(m, 56) + x.enough(m, 3) + x.slips(m, 55, 0) + x.wrong(m, 1);
            sum += x.chain(m, 10, 1) + x.meant(m, 11) + x.likeliest(m, 11) + x.who(12, 11) + x.room(m) + x.saved(m);
            sum += x.book(m, 12, 11) + x.looked() + x.act(m, 2, 5) + x.trace(1) + x.as(m, 3) + x.count(m);
        }
        return sum + x.twins() + x.image() + x.undo() + x.send();
    }

    private static void lookAtRoom() {
        com.sun.management.ThreadMXBean meter = (com.sun.management.ThreadMXBean) ManagementFactory.getThreadMXBean();
        PutBack first = new PutBack();
        PutBack second = new PutBack();
        long id = Thread.currentThread().getId();
        long answers = use(first);
        meter.getThreadAllocatedBytes(id);
        long ahead = meter.getThreadAllocatedBytes(id);
        boolean isSame = use(second) == answers;
        long made = meter.getThreadAllocatedBytes(id) - ahead;
        hold(isSame, "the same calls give the same answers");
        hold(made < 200, "calls make nothing: " + made + " bytes");
    }

    public static void main(String[] args) throws IOException {
        lookAtFace();
        lookAtClasses();
        lookAtSource();
        lookAtRoom();
        System.out.println(wrong == 0 ? "the language is kept to" : wrong + " things are not so");
        if (wrong != 0) {
            System.exit(1);
        }
    }
}
