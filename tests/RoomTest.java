import com.sun.management.ThreadMXBean;
import java.lang.management.ManagementFactory;

/** What 512 calls of each kind make, new objects among them, stays within the room of one run. */
public final class RoomTest {
    // 7.3 million fields and elements, taken as four bytes each: eight-byte ones count double here
    private static final long ROOM = 7300000L * 4;
    private static final int CALLS = 512;
    private static final String LAW = "eases if moods 0<5 then skill*2+fall else hold grief from 0 to 9 end+mood;"
            + "grows there+kind;laughs mood+laughed;";
    private static final ThreadMXBean BEAN = (ThreadMXBean) ManagementFactory.getThreadMXBean();

    public static void main(String[] args) {
        int wrong = 0;
        for (int round = 0; round < 2; round++) {
            for (int what = 0; what < 8; what++) {
                long made = made(what);
                if (round == 1) {
                    System.out.println("calls of kind " + what + " made " + made + " bytes");
                    wrong += made > ROOM ? 1 : 0;
                }
            }
        }
        if (wrong != 0) {
            System.exit(1);
        }
    }

    private static long made(int what) {
        ClownsMourn x = new ClownsMourn();
        for (int i = 0; i < 6; i++) {
            x.house(i % 4, 99);
        }
        for (int i = 0; i < 5; i++) {
            x.clown(1, 1);
            x.send(i, 0);
        }
        write(x);
        x.text();
        x.by(0);
        int[] words = words();
        long before = BEAN.getThreadAllocatedBytes(Thread.currentThread().getId());
        for (int i = 0; i < CALLS; i++) {
            switch (what) {
                case 0: x = new ClownsMourn(); break;
                case 1: x.comfort(0, 0, -1); break;
                case 2: x.all(-1); break;
                case 3: x.matched(-1); break;
                case 4: x.day(60); break;
                case 5: x.decades(i, 40); break;
                case 6: x.image(); x.back(); break;
                default:
                    x.back();
                    for (int k = 0; k < words.length; k += 5) {
                        x.feed(words[k], words[k + 1], words[k + 2], words[k + 3], words[k + 4]);
                    }
                    x.end(LAW.length());
                    x.text();
                    break;
            }
        }
        return BEAN.getThreadAllocatedBytes(Thread.currentThread().getId()) - before;
    }

    private static int[] words() {
        int[] words = new int[(LAW.length() + 19) / 20 * 5];
        for (int i = 0; i < words.length * 4; i++) {
            words[i / 4] = words[i / 4] << 8 | (i < LAW.length() ? LAW.charAt(i) : 0);
        }
        return words;
    }

    private static void write(ClownsMourn x) {
        int[] words = words();
        for (int k = 0; k < words.length; k += 5) {
            x.feed(words[k], words[k + 1], words[k + 2], words[k + 3], words[k + 4]);
        }
        x.end(LAW.length());
    }
}
