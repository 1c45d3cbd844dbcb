import java.util.ArrayList;
import java.util.List;

/**
 * All that can be seen of an object, as a row of texts. What is seen at last (the tape, the DAYS, the MARKS) can be
 * seen by using it up alone: an object is good for nothing behind it, and is held against another one of the same past.
 */
final class Whole {
    private final LikeRegistry x;
    private final List<String> seen = new ArrayList<>();

    private Whole(LikeRegistry x) {
        this.x = x;
    }

    /** But for STATUS, which a refused call may change. */
    static List<String> of(LikeRegistry x) {
        Whole w = new Whole(x);
        w.see("fault", x.fault(0));
        w.see("its place", x.fault(1));
        w.lookAll();
        return w.seen;
    }

    /** But for STATUS and what fault() tells. */
    static List<String> butFault(LikeRegistry x) {
        Whole w = new Whole(x);
        w.lookAll();
        return w.seen;
    }

    private void see(String what, long v) {
        seen.add(what + " " + v);
    }

    private void lookAll() {
        see("top", x.top());
        see("bottom", x.bottom());
        lookAtLived();
        lookAtTrays();
        lookAtRegistry();
        see("tape", x.feed(0x20202020, 0x20202020, 0x20202020, 0x20202020, 0x20202020));
        lookByLiving();
        for (int left = x.undo(); left != LikeRegistry.NONE; left = x.undo()) {
            see("marks left", left);
            lookAtRegistry();
            lookByLiving();
        }
        lookAtTape();
    }

    private void lookAtLived() {
        for (int what = 0; what < 5; what++) {
            see("lived " + what, x.lived(what));
        }
    }

    private void lookAtTrays() {
        for (int tray = 0; tray < 4; tray++) {
            long v = x.read(tray, 0);
            see("tray " + tray + " status", x.status());
            for (int place = 0; x.status() == 0; place++) {
                see("tray " + tray + " place " + place, v);
                v = x.read(tray, place + 1);
            }
            x.write(tray, 0, 0x0123_4567_89AB_CDEFL);
            see("tray " + tray + " by its sort", x.read(tray, 0));
        }
    }

    private void lookAtRegistry() {
        int[] told = new int[10];
        for (int what = 0; what < 10; what++) {
            told[what] = x.told(what);
            see("told " + what, told[what]);
        }
        for (int trait = 0; trait < told[0]; trait++) {
            see("weight of " + trait, x.trait(trait, 0));
        }
        for (int paper = 0; paper < told[1]; paper++) {
            see("traits of " + paper, x.traits(paper));
        }
        for (int clerk = 0; clerk < told[2]; clerk++) {
            see("clerk " + clerk, x.clerk(clerk));
        }
        for (int cell = 0; cell < told[3] * told[4]; cell++) {
            see("in cell " + cell, x.paperIn(cell));
        }
    }

    private void lookByLiving() {
        see("steps", x.live(4321));
        lookAtLived();
        see("who lies then", x.told(7));
        see("empty cells then", x.told(8));
        see("total then", x.told(9));
    }

    private void lookAtTape() {
        int taped = 0;
        while (x.feed(0, 0, 0, 0, 0) != LikeRegistry.NONE) {
            taped++;
        }
        see("feeds left", taped);
        see("registry off the tape", x.registry(900 - 20 * taped));
        see("fault off the tape", x.fault(0));
        see("its place", x.fault(1));
        lookAtRegistry();
    }
}
