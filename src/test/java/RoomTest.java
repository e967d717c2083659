import com.sun.management.ThreadMXBean;
import java.lang.management.ManagementFactory;

/** The room that calls take: a new object's is small, and only what is new is made later. */
public final class RoomTest {
    private static final int CALLS = 512;
    private static final ThreadMXBean ROOM =
            ManagementFactory.getThreadMXBean() instanceof ThreadMXBean counts ? counts : null;

    public static void main(String[] args) {
        if (ROOM == null || !ROOM.isThreadAllocatedMemorySupported()) {
            System.out.println("this machine does not count the room");
            return;
        }
        taken();
        newObject();
        madeOfAll();
        askedAgainAndAgain();
        Checks.end();
    }

    /** Bytes that this thread has taken so far; a first call takes some for itself. */
    private static long taken() {
        return ROOM.getCurrentThreadAllocatedBytes();
    }

    private static void within(String name, long bytes, long most) {
        Checks.due(name + " takes " + bytes + " bytes, at most " + most, bytes <= most ? 1 : 0, 1);
    }

    /** 512 of them hold some 3.5 million fields and elements: half of what one run may make. */
    private static void newObject() {
        new StudioYears();
        long before = taken();
        new StudioYears();
        within("a new object", taken() - before, 40_000);
    }

    private static void madeOfAll() {
        fill(new StudioYears());
        StudioYears x = new StudioYears();
        long before = taken();
        fill(x);
        within("as much of everything as may be", taken() - before, 60_000);
        Checks.due("sixteen", x.status(0), 16);
        Checks.due("eight", x.status(1), 8);
        Checks.due("six", x.status(3), 6);
    }

    private static void fill(StudioYears x) {
        for (int i = 0; i < 16; i++) {
            x.person(7);
            x.picture(0);
            x.hall(0, 0, 0);
            for (int scene = 0; scene < 9; scene++) {
                x.scene(i, 0, 0, 1);
            }
        }
    }

    /** Rows, days, searches and all that is asked use the rows that are there. */
    private static void askedAgainAndAgain() {
        for (int round = 0; round < 3; round++) {
            StudioYears x = Stages.midYear();
            long before = taken();
            for (int call = 0; call < CALLS; call++) {
                use(x, call);
            }
            // The first rounds make what the machine needs for itself.
            if (round == 2) {
                within("512 calls", taken() - before, 4_000);
            }
        }
    }

    private static void use(StudioYears x, int call) {
        switch (call % 8) {
            case 0:
                x.row(call / 8 % 8, 3, 60);
                break;
            case 1:
                x.costs(0, call);
                x.best(3);
                break;
            case 2:
                x.draft(2, 0, 0);
                break;
            case 3:
                x.reel(1, call % 400);
                break;
            case 4:
                x.plan(2);
                break;
            case 5:
                x.days(1);
                break;
            case 6:
                x.block(2, 7, call % 40);
                break;
            default:
                x.term(3, 0);
                x.takings(2, call % 40, 50);
                x.putRight(1, false);
                break;
        }
    }
}
