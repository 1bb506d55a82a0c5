import java.util.NoSuchElementException;

/** Calls of the program by name, and what comes of them as a text: a number, or throws.X. */
final class Calls {
    private Calls() {
    }

    interface Call {
        int run();
    }

    static String outcome(Call call) {
        try {
            return Integer.toString(call.run());
        } catch (IndexOutOfBoundsException e) {
            return e.getClass() == IndexOutOfBoundsException.class ? "throws.IndexOutOfBoundsException" : "" + e;
        } catch (NoSuchElementException e) {
            return e.getClass() == NoSuchElementException.class ? "throws.NoSuchElementException" : "" + e;
        }
    }

    static int ask(QuietChannels p, String name, int[] x) {
        switch (name) {
            case "feed": return p.feed(x[0], x[1], x[2], x[3], x[4]);
            case "text": return p.text(x[0]);
            case "fault": return p.fault(x[0]);
            case "named": return p.named(x[0]);
            case "tune": return p.tune(x[0], x[1]);
            case "block": return p.block(x[0]);
            case "power": return p.power(x[0], x[1]);
            case "slots": return p.slots(x[0], x[1]);
            case "complete": return p.complete();
            case "mend": return p.mend();
            case "user": return p.user(x[0], x[1]);
            case "blocked": return p.blocked(x[0]);
            case "products": return p.products(x[0]);
            case "product": return p.product(x[0], x[1]);
            case "hits": return p.hits(x[0]);
            case "hitBy": return p.hitBy(x[0], x[1]);
            case "crowds": return p.crowds(x[0]);
            case "clean": return p.clean();
            case "fits": return p.fits(x[0], x[1]);
            case "free": return p.free(x[0]);
            case "freeAt": return p.freeAt(x[0], x[1]);
            case "quietest": return p.quietest(x[0]);
            case "planned": return p.planned(x[0]);
            case "mended": return p.mended();
            case "leastBand": return p.leastBand();
            case "grown": return p.grown(x[0], x[1], x[2], x[3]);
            case "worst": return p.worst();
            case "ifTuned": return p.ifTuned(x[0], x[1]);
            case "bySort": return p.bySort(x[0], x[1]);
            case "loudest": return p.loudest();
            case "turned": return p.turned(x[0]);
            case "left": return p.left();
            case "bestSwap": return p.bestSwap();
            case "when": return p.when(x[0]);
            case "clearance": return p.clearance(x[0]);
            case "nearest": return p.nearest(x[0]);
            case "mostSpace": return p.mostSpace();
            case "spare": return p.spare(x[0]);
            case "rank": return p.rank(x[0]);
            case "linked": return p.linked(x[0], x[1]);
            case "mostPower": return p.mostPower(x[0]);
            case "mostGuard": return p.mostGuard();
            case "chance": return p.chance(x[0], x[1], x[2]);
            case "undo": return p.undo();
            case "keep": return p.keep();
            case "back": return p.back();
            case "count": return p.count(x[0]);
            default: throw new IllegalArgumentException(name);
        }
    }
}
